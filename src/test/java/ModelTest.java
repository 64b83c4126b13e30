import java.util.Random;

/** All promises: runs of up to 512 drawn calls, always the same ones, each answer against the model's. */
public final class ModelTest {
    private static final int RUNS = 3000;
    private static final int CALLS = 512;
    private static final int[] ANSWERS = new int[4];

    private final Random random;
    private final int run;
    private final GraphWriter x = new GraphWriter();
    private final Model model = new Model();
    /** How eager a run is to write; a low one lets data fill the stream. */
    private final int eagerness;
    private final boolean full;
    private int calls;

    private ModelTest(int run) {
        this.run = run;
        this.random = new Random(run);
        this.eagerness = 1 + random.nextInt(12);
        this.full = random.nextInt(3) == 0;
    }

    public static void main(String[] args) {
        for (int run = 0; run < RUNS; run++) {
            new ModelTest(run).draw();
        }
        // A run that never comes to one of the answers would show nothing of it.
        String[] names = {"done", "refused", "full", "aborted"};
        for (int i = 0; i < names.length; i++) {
            Checks.due("are there answers " + names[i], ANSWERS[i] > 1000 ? 1 : 0, 1);
        }
        Checks.end();
    }

    private void draw() {
        int build = 15 + random.nextInt(70);
        while (calls < CALLS) {
            if (calls < build) {
                build();
            } else if (calls > CALLS - 90) {
                // The last calls read single bytes, most of them near the end.
                int length = model.count(0);
                int place = random.nextBoolean() ? length - random.nextInt(60) : random.nextInt(length);
                due("byteAt(" + place + ")", x.byteAt(place), model.byteAt(place));
            } else {
                use();
            }
        }
    }

    private void due(String call, int got, int want) {
        Checks.due("run " + run + ": " + call, got, want);
        calls++;
        ANSWERS[want < 0 ? -want : 0]++;
    }

    /** Mostly a number from 0 up to the bound, at times one that is out of range. */
    private int upTo(int bound) {
        if (random.nextInt(25) == 0) {
            return new int[] {-1, -2, bound, bound + 1, Integer.MIN_VALUE, Integer.MAX_VALUE}[random.nextInt(6)];
        }
        return bound <= 0 ? 0 : random.nextInt(bound);
    }

    private long value() {
        switch (random.nextInt(6)) {
            case 0:
                return random.nextLong();
            case 1:
                return -1;
            case 2:
                return random.nextInt(3) - 2 + (random.nextInt(4) == 0 ? 1L << 32 : 0);
            default:
                return upTo(model.count(3));
        }
    }

    private void build() {
        switch (random.nextInt(12)) {
            case 0:
            case 1: {
                int number = upTo(6);
                int kind = upTo(5);
                int above = random.nextInt(3) == 0 ? -1 : upTo(6);
                long id = random.nextLong();
                due("define(" + number + ", " + kind + ", " + above + ", " + id + ")",
                    x.define(number, kind, above, id), model.define(number, kind, above, id));
                break;
            }
            case 2:
            case 3:
            case 4:
            case 5: {
                int number = upTo(6);
                int name = random.nextBoolean() ? upTo(26) : upTo(5);
                int type = random.nextInt(3) == 0 ? 7 : upTo(8);
                boolean isTransient = random.nextInt(5) == 0;
                due("field(" + number + ", " + name + ", " + type + ", " + isTransient + ")",
                    x.field(number, name, type, isTransient), model.field(number, name, type, isTransient));
                break;
            }
            case 6:
                make();
                break;
            default:
                if (random.nextInt(5) == 0) {
                    make();
                } else {
                    change();
                }
                break;
        }
    }

    private void make() {
        int number = upTo(6);
        switch (random.nextInt(6)) {
            case 0: {
                long signs = random.nextLong() & 0x7F7F7F7F7F7F7F7FL & (random.nextBoolean() ? -1L : random.nextLong());
                if (random.nextInt(6) == 0) {
                    signs |= 1L << random.nextInt(64);
                }
                due("text(" + signs + ")", x.text(signs), model.text(signs));
                break;
            }
            case 1: {
                boolean refs = random.nextInt(3) != 0;
                int length = upTo(refs ? 5 : 7);
                due("array(" + refs + ", " + length + ")", x.array(refs, length), model.array(refs, length));
                break;
            }
            case 2: {
                int name = upTo(26);
                due("constant(" + number + ", " + name + ")", x.constant(number, name), model.constant(number, name));
                break;
            }
            default:
                due("instance(" + number + ")", x.instance(number), model.instance(number));
                break;
        }
    }

    private void change() {
        int object = upTo(model.count(3));
        switch (random.nextInt(8)) {
            case 0: {
                int other = random.nextInt(3) == 0 ? -1 : upTo(model.count(3));
                due("replace(" + object + ", " + other + ")", x.replace(object, other), model.replace(object, other));
                break;
            }
            case 1: {
                int value = random.nextInt();
                due("extra(" + object + ", " + value + ")", x.extra(object, value), model.extra(object, value));
                break;
            }
            default: {
                int slot = upTo(Math.max(1, model.object(object, 2)));
                long value = value();
                due("set(" + object + ", " + slot + ", " + value + ")", x.set(object, slot, value),
                    model.set(object, slot, value));
                break;
            }
        }
    }

    private void look() {
        int object = upTo(model.count(3));
        int what = upTo(5);
        due("count(" + what + ")", x.count(what), model.count(what));
        due("object(" + object + ", " + what + ")", x.object(object, what), model.object(object, what));
        due("handle(" + object + ")", x.handle(object), model.handle(object));
    }

    private void use() {
        int drawn = random.nextInt(24);
        if (drawn < eagerness) {
            int object = random.nextInt(20) == 0 ? -1 : upTo(model.count(3));
            boolean unshared = random.nextInt(3) == 0;
            due("write(" + object + ", " + unshared + ")", x.write(object, unshared), model.write(object, unshared));
        } else if (drawn < 17) {
            if (full || random.nextInt(6) == 0) {
                long number = random.nextLong();
                int count = random.nextInt(3) == 0 ? 8 : 1 + upTo(8);
                due("data(" + number + ", " + count + ")", x.data(number, count), model.data(number, count));
            } else {
                change();
            }
        } else if (drawn == 17) {
            due("reset()", x.reset(), model.reset());
        } else if (drawn == 18) {
            build();
        } else if (drawn < 21) {
            change();
        } else {
            look();
        }
    }
}
