import java.util.NoSuchElementException;

/** What all tests share: counting wrong answers, feeding texts, making walls. */
final class Check {
    private int wrong = 0;
    private int asked = 0;

    void due(String what, long got, long want) {
        asked++;
        if (got != want) {
            wrong++;
            System.out.println(what + " answered " + got + ", due is " + want);
        }
    }

    void due(String what, boolean got, boolean want) {
        due(what, got ? 1 : 0, want ? 1 : 0);
    }

    /** name() must throw for these. */
    void noSuch(String what, NameWall wall, int name, int of) {
        boolean isThrown = false;
        try {
            wall.name(name, of);
        } catch (NoSuchElementException e) {
            isThrown = true;
        }
        due(what + ": NoSuchElementException", isThrown, true);
    }

    void end() {
        System.out.println(asked + " answers, " + wrong + " wrong");
        if (wrong > 0 || asked == 0) {
            System.exit(1);
        }
    }

    /** Feeds a text, twenty bytes a call; the last answer. */
    static int put(NameWall wall, String text) {
        int answer = wall.count(3);
        for (int from = 0; from < text.length(); from += 20) {
            int[] five = numbers(text.substring(from, Math.min(from + 20, text.length())));
            answer = wall.feed(five[0], five[1], five[2], five[3], five[4]);
        }
        return answer;
    }

    static int[] numbers(String upTo20) {
        int[] five = new int[5];
        for (int i = 0; i < upTo20.length(); i++) {
            five[i / 4] |= upTo20.charAt(i) << 24 - 8 * (i % 4);
        }
        return five;
    }

    static NameWall city(String text) {
        NameWall wall = new NameWall();
        put(wall, text);
        if (wall.text(0) < 0) {
            throw new IllegalArgumentException("no CITY: " + text);
        }
        return wall;
    }

    /** Adds a LAW and lets it hold. */
    static NameWall lawful(NameWall wall, String text) {
        put(wall, text);
        int law = wall.text(1);
        if (law < 0 || !wall.law(law)) {
            throw new IllegalArgumentException("no LAW: " + text);
        }
        return wall;
    }

    static NameWall city(String text, String law) {
        return lawful(city(text), law);
    }

    static int faultOf(String text, int sort) {
        NameWall wall = new NameWall();
        put(wall, text);
        return wall.fault(sort);
    }
}
