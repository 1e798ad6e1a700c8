import java.util.Random;

/** Makes stories of the grammar; nearly all of them keep to its limits. */
final class StoryMaker {
    private final Random random;
    private final StringBuilder text = new StringBuilder();
    private final int flags;
    private final int meters;
    private final int blanks;
    private final int goals;
    // Many choices and no way out of a node but by them: such stories have many waiting states.
    private final boolean rich;
    private String names = "";

    private StoryMaker(Random random) {
        this.random = random;
        flags = 1 + random.nextInt(6);
        meters = 1 + random.nextInt(3);
        blanks = random.nextInt(3) == 0 ? 4 : 40;
        goals = random.nextInt(6);
        rich = random.nextInt(3) == 0;
    }

    static String make(Random random) {
        for (int turn = 0; turn < 100; turn++) {
            String text = new StoryMaker(random).story();
            if (text.length() <= 400) {
                return text;
            }
        }
        return "=A";
    }

    private String story() {
        int nodes = random.nextInt(8) == 0 ? 1 + random.nextInt(12) : 1 + random.nextInt(4);
        while (names.length() < nodes) {
            char name = (char) ('A' + random.nextInt(12));
            if (names.indexOf(name) < 0) {
                names += name;
            }
        }
        for (int i = 0; i < nodes; i++) {
            put('=');
            put(names.charAt(i));
            if (random.nextInt(3) == 0) {
                put('#');
            }
            if (rich) {
                richBlock();
            } else {
                block(1, 4 + random.nextInt(3));
            }
        }
        return text.toString();
    }

    private void put(char code) {
        if (random.nextInt(blanks) == 0) {
            text.append(' ');
        }
        text.append(code);
    }

    private void richBlock() {
        if (random.nextInt(3) == 0) {
            test(5);
        }
        int many = 1 + random.nextInt(4);
        for (int i = 0; i < many; i++) {
            choice(random.nextInt(3) == 0 ? 1 : 3);
        }
    }

    private void block(int depth, int most) {
        int many = random.nextInt(most + 1);
        for (int i = 0; i < many; i++) {
            statement(depth);
        }
    }

    private void statement(int depth) {
        int kind = random.nextInt(depth == 1 ? 16 : 13);
        if (depth >= 6 && random.nextInt(50) > 0) {
            kind = random.nextInt(5);
        }
        if (kind < 1) {
            number();
        } else if (kind < 3) {
            put(random.nextInt(3) > 0 ? '+' : '-');
            flag();
        } else if (kind < 6) {
            put((char) ('x' + random.nextInt(meters)));
            put("=++-".charAt(random.nextInt(4)));
            digit(4);
        } else if (kind < 9) {
            test(depth);
        } else if (kind < 11 || kind > 12) {
            choice(depth);
        } else if (random.nextInt(6) < 1 + goals) {
            leave();
        }
    }

    private void leave() {
        int kind = random.nextInt(10);
        if (kind < 6) {
            put('>');
            put(names.charAt(random.nextInt(names.length())));
        } else if (kind < 8) {
            put('<');
        } else {
            put('.');
            digit(10);
        }
    }

    private void test(int depth) {
        put('?');
        condition();
        put('{');
        block(depth + 1, 3);
        put('}');
        if (random.nextBoolean()) {
            put('{');
            block(depth + 1, 3);
            put('}');
        }
    }

    private void choice(int depth) {
        put('[');
        number();
        if (random.nextInt(3) == 0) {
            put('?');
            condition();
        }
        put(']');
        put('{');
        block(depth + 1, 3);
        put('}');
    }

    private void condition() {
        int terms = random.nextInt(3) > 0 ? 1 : 2 + random.nextInt(2);
        for (int i = 0; i < terms; i++) {
            if (i > 0) {
                put('&');
            }
            if (random.nextBoolean()) {
                if (random.nextInt(3) == 0) {
                    put('!');
                }
                flag();
            } else {
                put((char) ('x' + random.nextInt(meters)));
                put("<>=".charAt(random.nextInt(3)));
                digit(random.nextInt(4) == 0 ? 10 : 5);
            }
        }
    }

    private void flag() {
        put((char) ('a' + random.nextInt(flags)));
    }

    private void digit(int below) {
        put((char) ('0' + random.nextInt(below)));
    }

    private void number() {
        // A blank keeps it apart from a number before it.
        text.append(' ').append(random.nextInt(random.nextBoolean() ? 10 : 100));
    }
}
