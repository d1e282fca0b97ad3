/** What the tests share: answers held against what is due, and texts put onto the tape. */
final class Check {
    private static final int NOT_KNOWN = -1;

    private static int asked = 0;
    private static int wrong = 0;

    private Check() {
    }

    static void due(String what, long got, long want) {
        asked++;
        if (got != want) {
            wrong++;
            System.out.println(what + " answered " + got + ", due is " + want);
        }
    }

    static void due(String what, boolean got, boolean want) {
        due(what, got ? 1 : 0, want ? 1 : 0);
    }

    static void finish(String name) {
        System.out.println(name + ": " + asked + " answers, " + wrong + " wrong");
        if (wrong != 0) {
            System.exit(1);
        }
    }

    /** Puts a text behind the tape, byte by byte as its signs are numbered: how many the tape has then. */
    static int feed(TongueCamp x, String text) {
        int had = NOT_KNOWN;
        for (int from = 0; from < text.length(); from += 20) {
            int[] n = new int[5];
            for (int i = 0; i < 20; i++) {
                int sign = from + i < text.length() ? text.charAt(from + i) : ' ';
                n[i / 4] = n[i / 4] << 8 | sign;
            }
            int has = x.feed(n[0], n[1], n[2], n[3], n[4]);
            if (has < 0) {
                return has;
            }
            had = had == NOT_KNOWN ? has - 20 : had;
        }
        return had == NOT_KNOWN ? 0 : x.end(had + text.length());
    }

    /** A text taken as the game. */
    static int game(TongueCamp x, String text) {
        feed(x, text);
        return x.game();
    }

    /** A camp with children given as rows of tongue, age, shy. */
    static TongueCamp camp(int[]... children) {
        TongueCamp x = new TongueCamp();
        for (int[] c : children) {
            x.child(c[0], c[1], c[2] != 0);
        }
        return x;
    }

    static int[] row(int... numbers) {
        return numbers;
    }
}
