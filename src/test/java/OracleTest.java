import java.util.Random;

/** Runs of calls drawn from fixed seeds: each answer is the oracle's, and none is an exception. */
public final class OracleTest {
    private static final int RUNS = 1500;
    private static final int CALLS = 512;
    private static final int[] ODD_NUMBERS = {Integer.MIN_VALUE, -100, -2, -1, 4, 5, 6, 7, 100, 255, 256, Integer.MAX_VALUE};

    private final Random random;
    private final int run;
    private final WaitPlaces x = new WaitPlaces();
    private final Oracle y = new Oracle();
    private int calls = 0;

    private OracleTest(int run) {
        this.run = run;
        random = new Random(run);
    }

    public static void main(String[] args) {
        for (int run = 0; run < RUNS; run++) new OracleTest(run).go();
        Check.end("OracleTest");
    }

    private void go() {
        boolean spoilt = random.nextInt(4) == 0;
        while (calls < CALLS - 130) {
            tell(spoilt ? spoil(text()) : text());
            int busy = spoilt ? 5 : 20 + random.nextInt(200);
            for (int i = 0; i < busy && calls < CALLS; i++) call();
        }
        while (calls < CALLS) call();
    }

    private void due(String call, int got, int want) {
        calls++;
        Check.due("run " + run + ", call " + calls + ": " + call, got, want);
    }

    private void tell(String text) {
        due("clear()", x.clear(), y.clear());
        for (int i = 0; i < text.length(); i++) due("type(" + (int) text.charAt(i) + ")", x.type(text.charAt(i)), y.type(text.charAt(i)));
        due("threads() of '" + text + "'", x.threads(), y.threads());
    }

    private String text() {
        StringBuilder text = new StringBuilder();
        int threads = 1 + random.nextInt(4);
        int places = 1 + random.nextInt(3);
        String letters = random.nextInt(2) == 0 ? "siwbkqlux" : random.nextInt(2) == 0 ? "llluuux" : "wwwbbkqsi";
        for (int p = 0; p < 3; p++) {
            if (random.nextInt(3) == 0) text.append("v" + p + " " + random.nextInt(4) + ";");
        }
        for (int t = 0; t < threads; t++) {
            text.append(random.nextInt(8) == 0 ? " t " : "t");
            int length = random.nextInt(6);
            for (int n = 0; n < length && text.length() < 100 - 6 * (threads - t); n++) {
                text.append(operation(letters.charAt(random.nextInt(letters.length())), places));
            }
            text.append(";");
            if (random.nextInt(2) == 0 && text.length() < 112) text.append("r" + random.nextInt(t + 1) + " " + random.nextInt(4) + ";");
        }
        return text.toString();
    }

    private String operation(char letter, int places) {
        int p = random.nextInt(places);
        return switch (letter) {
            case 'x' -> "x";
            case 'i', 'l', 'u' -> "" + letter + p;
            case 'k' -> "k" + p + " " + (1 + random.nextInt(3));
            case 'q' -> "q" + p + " " + (p + 1 + random.nextInt(2)) % 3;
            default -> "" + letter + p + " " + random.nextInt(random.nextInt(3) == 0 ? 4 : 2);
        };
    }

    private String spoil(String text) {
        StringBuilder other = new StringBuilder(text);
        int changes = 1 + random.nextInt(3);
        for (int i = 0; i < changes && other.length() > 0; i++) {
            int at = random.nextInt(other.length());
            String letters = "vtrsiwbkqlux; 0123459y";
            char letter = random.nextInt(12) == 0 ? (char) random.nextInt(256) : letters.charAt(random.nextInt(letters.length()));
            switch (random.nextInt(4)) {
                case 0 -> other.deleteCharAt(at);
                case 1 -> other.insert(at, letter);
                case 2 -> other.setCharAt(at, letter);
                default -> other.setLength(at);
            }
        }
        return other.toString();
    }

    private int number(int below) {
        if (random.nextInt(25) == 0) return ODD_NUMBERS[random.nextInt(ODD_NUMBERS.length)];
        return random.nextInt(below);
    }

    private void call() {
        int a = number(4);
        switch (random.nextInt(30)) {
            case 0, 1, 2 -> due("step(" + a + ")", x.step(a), y.step(a));
            case 3, 4, 5, 6, 7, 8 -> {
                int t = random.nextInt(4);
                due("step(" + t + ")", x.step(t), y.step(t));
            }
            case 9, 10 -> due("undo()", x.undo(), y.undo());
            case 11 -> due("row(" + a + ")", x.row(a), y.row(a));
            case 12, 13 -> {
                int p = number(3);
                int what = number(5);
                due("place(" + p + ", " + what + ")", x.place(p, what), y.place(p, what));
            }
            case 14, 15, 16 -> {
                int what = number(6);
                due("thread(" + a + ", " + what + ")", x.thread(a, what), y.thread(a, what));
            }
            case 17 -> due("all(" + a + ")", x.all(a), y.all(a));
            case 18 -> {
                int k = number(12) - 1;
                due("worst(" + k + ")", x.worst(k), y.worst(k));
            }
            case 19 -> {
                int p = number(3);
                int what = number(2);
                due("can(" + p + ", " + what + ")", x.can(p, what), y.can(p, what));
            }
            case 20 -> due("slept()", x.slept(), y.slept());
            case 21, 22 -> {
                int p = number(3);
                due("sees(" + p + ", " + a + ")", x.sees(p, a), y.sees(p, a));
            }
            case 23 -> {
                if (random.nextInt(3) == 0) due("forget()", x.forget(), y.forget());
            }
            case 24 -> {
                int what = number(2);
                due("unseen(" + what + ")", x.unseen(what), y.unseen(what));
            }
            case 25, 26 -> {
                int image = number(2);
                due("keep(" + image + ")", x.keep(image), y.keep(image));
            }
            case 27 -> {
                int image = number(2);
                due("back(" + image + ")", x.back(image), y.back(image));
            }
            case 28 -> {
                int what = number(6);
                due("count(" + what + ")", x.count(what), y.count(what));
            }
            default -> {
                int letter = number(256);
                if (random.nextInt(4) == 0) due("type(" + letter + ")", x.type(letter), y.type(letter));
            }
        }
    }
}
