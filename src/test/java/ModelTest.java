import java.util.ArrayList;
import java.util.List;
import java.util.Random;

/** Runs by chance on the class and on the Model: every answer must be the same. */
public final class ModelTest {
    private static final int RUNS = 3000;
    private static final int CALLS = 480;

    private final BlackLine line = new BlackLine();
    private final Model model = new Model();
    private final Random random;
    private final Kitchens kitchens;
    private final int run;
    private int calls = 0;

    private ModelTest(int run) {
        this.run = run;
        random = new Random(run);
        kitchens = new Kitchens(random);
    }

    public static void main(String[] args) {
        int from = args.length > 0 ? Integer.parseInt(args[0]) : 0;
        int count = args.length > 1 ? Integer.parseInt(args[1]) : RUNS;
        for (int run = from; run < from + count; run++) {
            new ModelTest(run).go();
        }
        Check.finish();
    }

    private void go() {
        if (random.nextInt(8) == 0) {
            calls(40);
        }
        while (calls < CALLS) {
            readKitchen(kitchens.any());
            calls(random.nextInt(150));
        }
    }

    private void calls(int n) {
        for (int k = 0; k < n && calls < CALLS; k++) {
            oneCall();
        }
    }

    private void same(String call, long got, long want) {
        calls++;
        if (got != want) {
            Check.due("run " + run + ", call " + calls + ", " + call, got, want);
        } else {
            Check.due(call, got, want);
        }
    }

    private void same(String call, boolean got, boolean want) {
        same(call, got ? 1 : 0, want ? 1 : 0);
    }

    private void readKitchen(String text) {
        String cut = text.length() > 1600 ? text.substring(0, 1600) : text;
        feed(Check.bytesOf(cut));
        same("kitchen() of " + cut, line.kitchen(), model.kitchen());
        same("fault(0) of " + cut, line.fault(0), model.fault(0));
        same("fault(1) of " + cut, line.fault(1), model.fault(1));
    }

    private void feed(int[] bytes) {
        same("end(0)", line.end(0), model.end(0));
        int[] padded = java.util.Arrays.copyOf(bytes, (bytes.length + 19) / 20 * 20);
        for (int k = 0; k < padded.length; k += 20) {
            feedRow(padded, k);
        }
        same("end", line.end(bytes.length), model.end(bytes.length));
    }

    private void feedRow(int[] b, int k) {
        int[] w = new int[5];
        for (int i = 0; i < 5; i++) {
            w[i] = Check.word(b, k + 4 * i);
        }
        same("feed", line.feed(w[0], w[1], w[2], w[3], w[4]), model.feed(w[0], w[1], w[2], w[3], w[4]));
    }

    /** Mostly one that is there; at times one beyond either end, or far off. */
    private int upTo(int most) {
        int kind = random.nextInt(40);
        if (kind == 0) {
            return -1;
        }
        if (kind == 1) {
            return most + 1;
        }
        if (kind == 2) {
            return random.nextInt();
        }
        return most < 0 ? 0 : random.nextInt(most + 1);
    }

    private int aBox() {
        return upTo(model.has(2) - 1);
    }

    private void oneCall() {
        int kind = random.nextInt(40);
        if (kind < 12) {
            askNow(kind);
        } else if (kind < 28) {
            askAhead(kind);
        } else {
            act(kind);
        }
    }

    private void askNow(int kind) {
        int a = aBox();
        int b;
        switch (kind) {
            case 0:
                b = upTo(10);
                same("has(" + b + ")", line.has(b), model.has(b));
                break;
            case 1:
                b = upTo(5);
                same("letter", line.letter(a, b), model.letter(a, b));
                break;
            case 2:
                int x = upTo(model.has(0) - 1);
                int y = upTo(model.has(1) - 1);
                b = upTo(2);
                same("cell", line.cell(x, y, b), model.cell(x, y, b));
                break;
            case 3:
            case 4:
            case 5:
                b = upTo(7);
                same("box(" + a + ", " + b + ")", line.box(a, b), model.box(a, b));
                break;
            case 6:
                b = upTo(2);
                same("sees", line.sees(a, b), model.sees(a, b));
                break;
            case 7:
                b = upTo(1);
                same("fault", line.fault(b), model.fault(b));
                break;
            case 8:
                b = upTo(5);
                same("status", line.status(b), model.status(b));
                break;
            case 9:
            case 10:
                b = upTo(model.has(8) - 1);
                int w = upTo(3);
                same("kept", line.kept(b, w), model.kept(b, w));
                break;
            default:
                b = upTo(60);
                same("octet", line.octet(b), model.octet(b));
                break;
        }
    }

    private void askAhead(int kind) {
        int a = aBox();
        int b;
        int c;
        switch (kind) {
            case 12:
                same("round(" + a + ")", line.round(a), model.round(a));
                break;
            case 13:
                b = random.nextBoolean() ? upTo(99) : upTo(5);
                same("loses(" + a + ", " + b + ")", line.loses(a, b), model.loses(a, b));
                break;
            case 14:
                same("jam()", line.jam(), model.jam());
                break;
            case 15:
                b = aBox();
                c = upTo(80);
                same("gap(" + a + ", " + b + ", " + c + ")", line.gap(a, b, c), model.gap(a, b, c));
                break;
            case 16:
            case 17:
                b = upTo(60);
                c = upTo(2);
                same("tuned(" + a + ", " + b + ", " + c + ")", line.tuned(a, b, c), model.tuned(a, b, c));
                break;
            case 18:
                same("found(" + a + ")", line.found(a), model.found(a));
                break;
            case 19:
                b = random.nextBoolean() ? upTo(80) : upTo(8);
                same("spaced(" + b + ")", line.spaced(b), model.spaced(b));
                break;
            case 20:
                b = random.nextBoolean() ? upTo(60) : upTo(5);
                same("bright(" + b + ")", line.bright(b), model.bright(b));
                break;
            case 21:
                tellTracks();
                break;
            case 22:
            case 23:
                b = upTo(1);
                same("wheel(" + a + ", " + b + ")", line.wheel(a, b), model.wheel(a, b));
                break;
            default:
                b = upTo(80);
                c = upTo(4);
                same("later(" + a + ", " + b + ", " + c + ")", line.later(a, b, c), model.later(a, b, c));
                break;
        }
    }

    private void tellTracks() {
        List<Integer> bytes = new ArrayList<>();
        int box = Math.max(0, model.has(2) - 1);
        for (int k = random.nextInt(random.nextInt(6) == 0 ? 18 : 3); k >= 0; k--) {
            int n = random.nextInt(random.nextInt(20) == 0 ? 42 : 41);
            int column = random.nextInt(8) == 0 ? random.nextInt(10) : model.later(box, n, 0);
            int row = random.nextInt(8) == 0 ? random.nextInt(10) : model.later(box, n, 1);
            bytes.addAll(List.of(n, column & 255, row & 255));
        }
        if (random.nextInt(20) == 0) {
            bytes.add(0);
        }
        feed(bytes.stream().mapToInt(v -> v).toArray());
        same("track", line.track(), model.track());
    }

    private void act(int kind) {
        int a = aBox();
        int b;
        int n;
        switch (kind) {
            case 28:
            case 29:
                n = random.nextInt(4) == 0 ? upTo(100) : upTo(6);
                same("steps(" + n + ")", line.steps(n), model.steps(n));
                break;
            case 30:
            case 31:
                n = random.nextInt(4) == 0 ? upTo(100) : upTo(6);
                same("chance(" + n + ")", line.chance(n), model.chance(n));
                break;
            case 32:
                b = upTo(3);
                same("turn(" + a + ", " + b + ")", line.turn(a, b), model.turn(a, b));
                break;
            case 33:
                b = upTo(model.has(0) - 1);
                n = upTo(model.has(1) - 1);
                same("put(" + a + ", " + b + ", " + n + ")", line.put(a, b, n), model.put(a, b, n));
                break;
            case 34:
                b = upTo(9);
                same("shine(" + b + ")", line.shine(b), model.shine(b));
                break;
            case 35:
            case 36:
                for (int k = random.nextInt(random.nextInt(5) == 0 ? 24 : 2); k >= 0; k--) {
                    same("undo()", line.undo(), model.undo());
                }
                break;
            case 37:
                b = random.nextInt();
                same("seed(" + b + ")", line.seed(b), model.seed(b));
                break;
            case 38:
                same("image()", line.image(), model.image());
                break;
            default:
                setOn();
                break;
        }
    }

    /** The latest image, at times with a byte changed and the last one set to fit. */
    private void setOn() {
        List<Integer> bytes = new ArrayList<>();
        for (int k = 0; model.octet(k) >= 0; k++) {
            bytes.add(model.octet(k));
        }
        int changes = random.nextInt(3);
        for (int k = 0; k < changes && bytes.size() > 3; k++) {
            int at = random.nextInt(bytes.size() - 1);
            bytes.set(at, random.nextBoolean() ? random.nextInt(10) : random.nextInt(256));
            if (random.nextInt(6) > 0) {
                bytes.set(bytes.size() - 1, Model.check(bytes, bytes.size() - 1));
            }
        }
        if (random.nextInt(3) == 0 && bytes.size() > 3) {
            bytes.set(0, 3);
            bytes.set(1, 226 + random.nextInt(7));
            bytes.set(bytes.size() - 1, Model.check(bytes, bytes.size() - 1));
        }
        feed(bytes.stream().mapToInt(v -> v).toArray());
        same("on()", line.on(), model.on());
    }
}
