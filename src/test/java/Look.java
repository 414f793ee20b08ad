/** Tells all that can be seen of an object: so two objects can be held against one another. */
final class Look {
    private Look() {
    }

    static String registers(DecimalWords x) {
        StringBuilder text = new StringBuilder();
        for (int r = 0; r < 8; r++) {
            text.append(x.kind(r)).append(' ').append(x.coefficient(r)).append(' ').append(x.exponent(r));
            text.append(' ').append(x.pack(r, 0)).append(' ').append(x.pack(r, 1)).append("; ");
        }
        return text.append("flags ").append(x.flags()).toString();
    }

    /** Finds by trials which traps and which mode are set; the object can't be used on after it. */
    static String settings(DecimalWords x) {
        StringBuilder text = new StringBuilder("traps:");
        Sentences.set(x, 0, "INF");
        Sentences.set(x, 1, "0E0");
        Sentences.set(x, 2, "1E0");
        Sentences.set(x, 3, "3E0");
        Sentences.set(x, 4, Sentences.MOST);
        Sentences.set(x, 5, Sentences.LEAST);
        text.append(trial(x, Sentences.MULTIPLY, 0, 1)).append(trial(x, Sentences.DIVIDE, 2, 1));
        text.append(trial(x, Sentences.MULTIPLY, 4, 4)).append(trial(x, Sentences.MULTIPLY, 5, 5));
        text.append(trial(x, Sentences.DIVIDE, 2, 3)).append(" mode:");
        x.trap(0);
        for (String half : new String[] {"25E-1", "-25E-1", "24E-1", "-24E-1", "26E-1"}) {
            Sentences.set(x, 6, half);
            x.apply(Sentences.QUANTIZE, 7, 6, 1);
            text.append(' ').append(Sentences.text(x, 7));
        }
        return text.toString();
    }

    private static String trial(DecimalWords x, int operation, int a, int b) {
        return Sentences.thrown(x, y -> y.apply(operation, 7, a, b)).equals("nothing") ? " no" : " yes";
    }
}
