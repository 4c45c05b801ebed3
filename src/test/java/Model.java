/**
 * The booth told a second time, in the words of the document and with classes for KINDS, so that
 * AgreementTest has something to hold BoothFlash against. It is slow and makes objects.
 */
final class Model {
    static class Rules {
        int may(int still) {
            return 2;
        }

        boolean shut(int f, int minute, int still, int light) {
            return (minute + f + still) % 4 == 0;
        }

        boolean smiles(int f, int merry) {
            if (merry > 5) {
                return true;
            }
            return f == 3 && merry > 2;
        }

        boolean shines(int light) {
            return false;
        }
    }

    static class Child extends Rules {
        @Override
        int may(int still) {
            return super.may(still) + 3;
        }

        @Override
        boolean shut(int f, int minute, int still, int light) {
            return super.shut(f, minute, still, light) || light >= 8;
        }

        @Override
        boolean smiles(int f, int merry) {
            return merry + f > 4;
        }
    }

    static class Baby extends Child {
        @Override
        int may(int still) {
            return 2 * super.may(still);
        }

        @Override
        boolean shut(int f, int minute, int still, int light) {
            return f == 0 || f == 2;
        }

        @Override
        boolean smiles(int f, int merry) {
            return false;
        }
    }

    static class Glasses extends Rules {
        @Override
        boolean shines(int light) {
            return light > 6;
        }
    }

    static class Shy extends Glasses {
        @Override
        int may(int still) {
            return super.may(still) - 1;
        }

        @Override
        boolean shut(int f, int minute, int still, int light) {
            return (minute + f) % 3 == 0;
        }

        @Override
        boolean smiles(int f, int merry) {
            return false;
        }
    }

    static class Old extends Shy {
        @Override
        int may(int still) {
            return super.may(still) + still / 3;
        }

        @Override
        boolean shut(int f, int minute, int still, int light) {
            return light >= 4 && super.shut(f, minute, still, light);
        }

        @Override
        boolean shines(int light) {
            return light > 5;
        }
    }

    static class Twin extends Rules {
        @Override
        boolean smiles(int f, int merry) {
            return f != 0 && super.smiles(f, merry);
        }
    }

    static final Rules[] RULES = {
        new Rules(), new Child(), new Glasses(), new Shy(), new Old(), new Twin(), new Baby()
    };
    static final int[] MOST = {6, 90, 9, 9, 999, 999, 9999};

    int stool = 20;
    int light = 5;
    int price = 5;
    int till = 0;
    int minute = 0;
    int z = 1;
    int many = 0;
    /* Of each SITTER: KIND, TALL, STILL, MERRY, COINS, TAKEN, TRIED, as in of(). */
    int[][] who = new int[8][];
    int[] places = {-1, -1, -1, -1, -1, -1};

    Model twin() {
        Model m = new Model();
        m.stool = stool;
        m.light = light;
        m.price = price;
        m.till = till;
        m.minute = minute;
        m.z = z;
        m.many = many;
        for (int s = 0; s < many; s++) {
            m.who[s] = who[s].clone();
        }
        m.places = places.clone();
        return m;
    }

    int add(int kind, int tall) {
        who[many] = new int[] {kind, tall, 5, 3, 20, 0, 0};
        return many++;
    }

    int off(int s) {
        int off = who[s][1] + stool - 80;
        return off < 0 ? -off : off;
    }

    int may(int s) {
        return RULES[who[s][0]].may(who[s][2]);
    }

    int faults(int s, int f) {
        Rules rules = RULES[who[s][0]];
        int set = 0;
        set += off(s) > may(s) ? 1 : 0;
        set += rules.shut(f, minute, who[s][2], light) ? 2 : 0;
        set += rules.smiles(f, who[s][3]) ? 4 : 0;
        set += rules.shines(light) ? 8 : 0;
        set += light <= 1 ? 16 : 0;
        return set;
    }

    boolean clear(int s) {
        return faults(s, 0) == 0 || faults(s, 1) == 0 || faults(s, 2) == 0 || faults(s, 3) == 0;
    }

    Model minutes(int n) {
        for (int i = 0; i < n; i++) {
            oneMinute();
        }
        return this;
    }

    private void oneMinute() {
        int s = places[minute % 6];
        if (s >= 0 && who[s][4] >= price) {
            int[] w = who[s];
            w[4] -= price;
            till = most(till + price, 99999);
            w[6] = most(w[6] + 1, 9999);
            int wanted = 80 - w[1];
            wanted = wanted < 0 ? 0 : most(wanted, 60);
            for (int turn = 0; turn < 4 && stool != wanted; turn++) {
                stool += stool < wanted ? 1 : -1;
            }
            if (clear(s)) {
                w[5] = most(w[5] + 1, 999);
                w[2] = most(w[2] + 1, 9);
            } else if (w[3] > 0) {
                w[3]--;
            }
        }
        minute = most(minute + 1, 99999);
        if (minute % 6 == 0) {
            for (int i = 0; i < many; i++) {
                who[i][4] = most(who[i][4] + 3, 999);
            }
        }
    }

    private static int most(int v, int bound) {
        return v > bound ? bound : v;
    }

    int draw() {
        z = z * 1103515245 + 12345;
        return z >>> 8;
    }

    int sum(int what) {
        int sum = 0;
        for (int s = 0; s < many; s++) {
            sum += who[s][what];
        }
        return sum;
    }
}
