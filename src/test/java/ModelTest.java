import java.util.ArrayList;
import java.util.List;
import java.util.NoSuchElementException;
import java.util.Random;

/** Promises 1 to 43: long runs of calls, each answer held against WallModel. A run is made by its number alone. */
public final class ModelTest {
    private static final int THROWN = Integer.MIN_VALUE;
    // What an object answers behind its 512th call is free: no run goes that far.
    private static final int MOST_STEPPED = 380;
    private static final int MOST_CALLS = 490;

    private final Random random;
    private final int run;
    private final NameWall wall = new NameWall();
    private final WallModel model = new WallModel();
    private final List<String> calls = new ArrayList<>();
    private boolean isWrong = false;

    private ModelTest(int run) {
        this.run = run;
        this.random = new Random(run * 7919L + 17);
    }

    public static void main(String[] args) {
        int from = args.length > 0 ? Integer.parseInt(args[0]) : 0;
        int runs = args.length > 1 ? Integer.parseInt(args[1]) : 500;
        int wrong = 0;
        for (int run = from; run < from + runs; run++) {
            wrong += new ModelTest(run).isRunRight() ? 0 : 1;
        }
        wrong += areFaultsRight(from, runs * 20) ? 0 : 1;
        System.out.println(runs + " runs, " + wrong + " wrong");
        if (wrong > 0) {
            System.exit(1);
        }
    }

    /** Texts alone: one new wall for each. */
    private static boolean areFaultsRight(int from, int texts) {
        for (int i = from; i < from + texts; i++) {
            Random random = new Random(i);
            String text = i % 2 == 0 ? Texts.city(random) : Texts.law(random);
            for (int spoilt = random.nextInt(4); spoilt > 0; spoilt--) {
                text = Texts.spoilt(text, random);
            }
            if (text.length() > 240) {
                continue;
            }
            NameWall wall = new NameWall();
            Check.put(wall, text);
            int city = TextModel.cityFault(text);
            int law = TextModel.lawFault(text);
            if (wall.fault(0) != city || wall.fault(1) != law) {
                System.out.println("'" + text + "' faults " + wall.fault(0) + " " + wall.fault(1) + ", due are "
                        + city + " " + law);
                return false;
            }
        }
        return true;
    }

    private boolean isRunRight() {
        if (random.nextInt(20) > 0) {
            tell(Texts.city(random), 0);
        }
        for (int laws = random.nextInt(4); laws > 0; laws--) {
            tell(Texts.law(random), 1);
            hold(random.nextInt(model.laws.size() + 1) - 1);
        }
        int length = 20 + random.nextInt(200);
        for (int i = 0; i < length && !isWrong && calls.size() < MOST_STEPPED; i++) {
            step();
        }
        // What a run leaves behind shows in all that can be asked.
        for (int op = 0; op < OPS && !isWrong && calls.size() < MOST_CALLS; op++) {
            ask(op);
        }
        return !isWrong;
    }

    private void tell(String text, int sort) {
        if (random.nextInt(4) > 0) {
            due("end(0)", wall.end(0), model.end(0));
        }
        for (int from = 0; from < text.length(); from += 20) {
            int[] five = Check.numbers(text.substring(from, Math.min(from + 20, text.length())));
            due("feed", wall.feed(five[0], five[1], five[2], five[3], five[4]),
                    model.feed(five[0], five[1], five[2], five[3], five[4]));
        }
        due("fault " + text, wall.fault(sort), model.fault(sort));
        due("text " + sort + " " + text, wall.text(sort), model.text(sort));
    }

    private void due(String call, boolean got, boolean want) {
        due(call, got ? 1 : 0, want ? 1 : 0);
    }

    private void due(String call, int got, int want) {
        calls.add(call + " = " + want);
        if (got != want && !isWrong) {
            isWrong = true;
            System.out.println("run " + run + ": " + call + " answered " + got + ", due is " + want);
            for (String line : calls.subList(Math.max(0, calls.size() - 25), calls.size())) {
                System.out.println("    " + line);
            }
        }
    }

    private void hold(int law) {
        due("law " + law, wall.law(law), model.law(law));
    }

    private int name() {
        return random.nextInt(30) == 0 ? random.nextInt(-2, 12) : random.nextInt(Math.max(1, model.people.size()));
    }

    private int hour() {
        return random.nextInt(20) == 0 ? random.nextInt(-2, 8) : random.nextInt(Math.max(1, model.hours));
    }

    private int set() {
        int standing = model.count(7);
        return random.nextInt(20) == 0 ? random.nextInt(-3, 260) : random.nextInt(256) & standing;
    }

    private void step() {
        int kind = random.nextInt(100);
        if (kind < 26) {
            shout();
        } else if (kind < 30) {
            boolean is = random.nextBoolean();
            due("fog " + is, wall.fog(is), model.fog(is));
        } else if (kind < 34) {
            int name = name();
            due("hoarse " + name, wall.hoarse(name), model.hoarse(name));
        } else if (kind < 41) {
            int n = random.nextInt(12) == 0 ? random.nextInt(-1, 63) : 1;
            due("evening " + n, wall.evening(n), model.evening(n));
        } else if (kind < 44) {
            int n = random.nextInt(8) == 0 ? random.nextInt(-1, 63) : random.nextInt(1, 3);
            long seed = random.nextLong();
            due("centuries " + n + " " + seed, wall.centuries(n, seed), model.centuries(n, seed));
        } else if (kind < 46) {
            undoSome();
        } else if (kind == 46) {
            due("image", wall.image(), model.image());
        } else if (kind == 47 && random.nextInt(3) == 0) {
            due("back", wall.back(), model.back());
            askOfAll(OPS);
        } else if (kind == 48) {
            int v = random.nextInt(-2, 102);
            due("fogs " + v, wall.fogs(v), model.fogs(v));
            due("fogs " + v, wall.fogs(v), model.fogs(v));
        } else if (kind == 49) {
            int v = random.nextInt(-2, 102);
            due("colds " + v, wall.colds(v), model.colds(v));
            due("colds " + v, wall.colds(v), model.colds(v));
        } else if (kind == 50) {
            tell(random.nextInt(4) == 0 ? Texts.spoilt(Texts.law(random), random) : Texts.law(random), 1);
        } else if (kind == 51) {
            hold(random.nextInt(-2, 5));
        } else if (kind == 52 && random.nextInt(6) == 0) {
            tell(random.nextInt(3) == 0 ? Texts.spoilt(Texts.city(random), random) : Texts.city(random), 0);
        } else if (kind == 53) {
            feedAny();
        } else if (kind < 57) {
            int place = random.nextInt(20) == 0 ? 3 : random.nextInt(3);
            int letter = random.nextInt(20) == 0 ? -1 : random.nextInt(5);
            boolean is = random.nextInt(5) == 0;
            due("dent " + place + letter + is, wall.dent(place, letter, is), model.dent(place, letter, is));
        } else {
            ask(random.nextInt(OPS));
        }
    }

    private void shout() {
        int name = name();
        int other = name();
        int hour = hour();
        due("shout " + name + " " + other + " " + hour, wall.shout(name, other, hour), model.shout(name, other, hour));
    }

    private void undoSome() {
        for (int i = random.nextInt(random.nextInt(5) == 0 ? 45 : 4); i >= 0; i--) {
            due("undo", wall.undo(), model.undo());
        }
    }

    private void feedAny() {
        int a = random.nextInt();
        int b = random.nextInt() & random.nextInt() & 0xff00ff00;
        int e = random.nextInt(3) - 1;
        due("feed any", wall.feed(a, b, 0, 7, e), model.feed(a, b, 0, 7, e));
        int n = random.nextInt(-1, model.tape.length() + 2);
        due("end " + n, wall.end(n), model.end(n));
    }

    private static final int OPS = 33;

    private void ask(int op) {
        if (op < 17) {
            askOfOne(op);
        } else {
            askOfAll(op);
        }
    }

    private static int nameOr(NameWall wall, int name, int what) {
        try {
            return wall.name(name, what);
        } catch (NoSuchElementException e) {
            return THROWN;
        }
    }

    private static int nameOr(WallModel model, int name, int what) {
        try {
            return model.name(name, what);
        } catch (NoSuchElementException e) {
            return THROWN;
        }
    }

    private void askOfOne(int op) {
        int name = name();
        int other = name();
        int what = random.nextInt(12) == 0 ? random.nextInt(-2, 5) : random.nextInt(2);
        String of = " " + name + " " + other + " " + what;
        switch (op) {
            case 0, 1, 2:
                for (int item = -1; item < 12; item++) {
                    due("name" + of + " " + item, nameOr(wall, name, item), nameOr(model, name, item));
                }
                break;
            case 3:
                due("tied" + of, wall.tied(name, other), model.tied(name, other));
                break;
            case 4:
                due("alone" + of, wall.alone(name), model.alone(name));
                break;
            case 5:
                due("price" + of, wall.price(name, what), model.price(name, what));
                break;
            case 6:
                due("friends" + of, wall.friends(name), model.friends(name));
                break;
            case 7:
                due("need" + of, wall.need(name), model.need(name));
                break;
            case 8, 9:
                int x = hour();
                int y = hour();
                due("rival " + name + x + y, wall.rival(name, x, y), model.rival(name, x, y));
                break;
            case 10, 11:
                int i = random.nextInt(-2, 8);
                due("rests " + name + " " + i, wall.rests(name, i), model.rests(name, i));
                break;
            case 12, 13:
                int n = random.nextInt(10) == 0 ? random.nextInt(-2, 34) : random.nextInt(8);
                int v = random.nextInt(-1, 11);
                int chance = random.nextInt(-2, 103);
                due("odds " + name + " " + n + " " + v + " " + chance, wall.odds(name, n, v, chance),
                        model.odds(name, n, v, chance));
                break;
            default:
                int set = set();
                due("ring " + set, wall.ring(set), model.ring(set));
                if (op == 16 && (model.standing().size() < 6 || random.nextInt(8) == 0)) {
                    due("keep " + set + " " + what, wall.keep(set, what), model.keep(set, what));
                }
        }
    }

    private void askOfAll(int op) {
        int what = random.nextInt(-2, 16);
        switch (op) {
            case 17 -> due("square " + what % 6, wall.square(what % 6), model.square(what % 6));
            case 18 -> due("packed", wall.packed(), model.packed());
            case 19 -> due("weak", wall.weak(), model.weak());
            case 20 -> due("parts", wall.parts(), model.parts());
            case 21 -> due("bridges", wall.bridges(), model.bridges());
            case 22 -> due("bond", wall.bond(), model.bond());
            case 23 -> due("fits " + what, wall.fits(what), model.fits(what));
            case 24 -> due("fits", wall.fits(-1), model.fits(-1));
            case 25 -> due("best", wall.best(), model.best());
            case 26 -> due("sharpest", wall.sharpest(), model.sharpest());
            case 27 -> due("faintest", wall.faintest(), model.faintest());
            case 28 -> due("richest", wall.richest(), model.richest());
            case 29 -> due("helped", wall.helped(), model.helped());
            case 30 -> due("doomed", wall.doomed(), model.doomed());
            case 31 -> {
                for (int of = -2; of < 17; of++) {
                    due("count " + of, wall.count(of), model.count(of));
                }
            }
            default -> {
                int i = random.nextInt(6) == 0 ? random.nextInt(-1, 64) : random.nextInt(4);
                for (int of = -1; of < 4; of++) {
                    due("log " + i + " " + of, wall.log(i, of), model.log(i, of));
                }
            }
        }
    }
}
