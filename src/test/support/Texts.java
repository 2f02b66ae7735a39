import java.util.Random;

/** Makes texts that are mostly right in grammar and types; the same ones for the same seed. */
final class Texts {
    private static final String ALPHABET = "xyztcabdmvw0159.=;+-*/(),AFNXSDVMBE";
    private final Random random;
    private final int[] types = new int[26];

    Texts(long seed) {
        random = new Random(seed);
    }

    String next() {
        java.util.Arrays.fill(types, 0);
        StringBuilder text = new StringBuilder();
        for (int i = random.nextInt(4); i > 0; i--) {
            char letter = "abdmvw".charAt(random.nextInt(6));
            int type = 1 + random.nextInt(4);
            text.append(letter).append('=').append(sum(type, 2)).append(';');
            types[letter - 'a'] = type;
        }
        text.append(sum(3, random.nextInt(8)));
        for (int i = random.nextInt(10) - 7; i > 0; i--) {
            spoil(text);
        }
        return text.length() > 160 ? next() : text.toString();
    }

    private void spoil(StringBuilder text) {
        int at = random.nextInt(text.length());
        char character = ALPHABET.charAt(random.nextInt(ALPHABET.length()));
        switch (random.nextInt(3)) {
            case 0:
                text.setCharAt(at, character);
                break;
            case 1:
                text.insert(at, character);
                break;
            default:
                if (text.length() > 1) {
                    text.deleteCharAt(at);
                }
        }
    }

    private boolean once(int in) {
        return random.nextInt(in) == 0;
    }

    /** Of the type, or sometimes of type 1, which goes with every other. */
    private int near(int type) {
        return once(3) ? 1 : type;
    }

    private String sum(int type, int depth) {
        String text = product(type, depth);
        while (once(3)) {
            String sign = once(2) ? "+" : "-";
            int other = near(type);
            text = once(2) ? text + sign + product(other, depth - 1) : product(other, depth - 1) + sign + text;
        }
        return text;
    }

    private String product(int type, int depth) {
        if (once(3) && (type == 2 || type == 4)) {
            return unit(4, depth) + "*" + unit(type, depth);
        }
        String text = unit(type, depth);
        if (once(3)) {
            text += "*" + unit(type == 4 ? 1 : near(type), depth);
        }
        if (once(4)) {
            text += "/" + unit(type == 4 ? 1 : near(type), depth);
        }
        return text;
    }

    private String unit(int type, int depth) {
        return (once(5) ? once(3) ? "--" : "-" : "") + part(type, depth);
    }

    private String part(int type, int depth) {
        char letter = "abdmvw".charAt(random.nextInt(6));
        if (types[letter - 'a'] == type && !once(3)) {
            return String.valueOf(letter);
        }
        if (depth <= 0 || once(3)) {
            return leaf(type);
        }
        int below = depth - 1;
        switch (random.nextInt(8)) {
            case 0: return "(" + sum(type, below) + ")";
            case 1: return "A(" + sum(type, below) + ")";
            case 2: return "F(" + sum(type, below) + ")";
            case 3: return "N(" + sum(type, below) + "," + sum(near(type), below) + ")";
            case 4: return (once(2) ? "X(" : "S(") + sum(near(type), below) + "," + sum(type, below) + ")";
            case 5: return type == 1 ? dotted(1 + random.nextInt(3), below) : joined(type, below);
            case 6: return type == 4 ? leaf(type) : "(" + sum(3, below) + ")." + letters(type, 3);
            default: return joined(type, below);
        }
    }

    private String dotted(int type, int depth) {
        return "D(" + sum(type, depth) + "," + sum(type, depth) + ")";
    }

    private String joined(int type, int depth) {
        switch (type) {
            case 1: return "(" + sum(1, depth) + ").x";
            case 2: return "V(" + sum(1, depth) + "," + sum(1, depth) + ")";
            case 3:
                if (once(3)) {
                    return "V(" + sum(1, depth) + "," + sum(1, depth) + "," + sum(1, depth) + ")";
                }
                return once(2) ? "V(" + sum(2, depth) + "," + sum(1, depth) + ")"
                    : "V(" + sum(1, depth) + "," + sum(2, depth) + ")";
            default: return "M(" + sum(2, depth) + "," + sum(2, depth) + ")";
        }
    }

    private String leaf(int type) {
        switch (type) {
            case 1:
                return once(2) ? number() : new String[] {"x", "y", "t", "c." + letters(1, 3)}[random.nextInt(4)];
            case 2: return once(4) ? "V(x,y)" : "c." + letters(2, 3);
            case 3: return once(4) ? "V(x,y,t)" : once(3) ? "c." + letters(3, 3) : "c";
            default: return "M(c." + letters(2, 3) + ",c." + letters(2, 3) + ")";
        }
    }

    private String letters(int count, int of) {
        StringBuilder text = new StringBuilder();
        for (int i = 0; i < count; i++) {
            text.append("xyz".charAt(random.nextInt(of)));
        }
        return text.toString();
    }

    private String number() {
        String whole = String.valueOf(random.nextInt(once(4) ? 10000 : 4));
        return once(2) ? whole : whole + "." + random.nextInt(once(2) ? 10 : 10000);
    }
}
