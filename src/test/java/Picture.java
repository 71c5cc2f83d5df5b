/**
 * All that can be asked of a town, as a text. An object is good for 512 calls alone, and some things can be asked
 * only by changing others: so each part is asked of a town that is made anew.
 */
final class Picture {
    private static final int PARTS = 15;
    private static final int[] OF_CELL = {0, 1, 2, 3, 4, 5, 10, 11, 12, 13, 14, 15, 16, 17, 18};
    private static final int[] OF_PERSON = {0, 1, 2, 3, 4, 5, 6, 10, 11, 12, 13, 14, 15, 16, 17, 18};

    private final StringBuilder seen = new StringBuilder();

    private Picture() {
    }

    static String of(Towns.Maker maker) {
        Picture picture = new Picture();
        for (int part = 0; part < PARTS; part++) {
            picture.seen.append("\npart ").append(part).append(':');
            picture.ask(maker.make(), part);
        }
        return picture.seen.toString();
    }

    private void note(int answer) {
        seen.append(' ').append(answer);
    }

    private void ask(OilTown x, int part) {
        switch (part) {
            case 0: askCells(x); break;
            case 1: askPersons(x); break;
            case 2: askDeeds(x); break;
            case 3: askLines(x); break;
            case 4: askTape(x); break;
            case 5: askSpots(x); break;
            case 6: askSheets(x, 0); break;
            case 7: askSheets(x, 2); break;
            case 8: askField(x, 0); break;
            case 9: askField(x, 1); break;
            case 10: askField(x, 2); break;
            default: askWells(x, 3 * (part - 11)); break;
        }
    }

    private void askCells(OilTown x) {
        for (int what = 0; what <= 13; what++) {
            note(x.count(what));
        }
        for (int c = 0; c < x.count(0); c++) {
            for (int what : OF_CELL) {
                note(x.cellOf(c, what));
            }
        }
    }

    private void askPersons(OilTown x) {
        for (int p = 0; p < 6; p++) {
            for (int what : OF_PERSON) {
                note(x.told(p, what));
            }
            for (int c = 0; c < 12; c++) {
                note(x.why(p, c));
            }
        }
    }

    private void askDeeds(OilTown x) {
        for (int k = 0; k < 12; k++) {
            for (int what = 0; what <= 4; what++) {
                note(x.leaseOf(k, what));
            }
        }
        for (int shift = 0; shift < 50; shift++) {
            note(x.price(shift));
        }
        for (int l = 0; l < 8; l++) {
            note(x.holds(l));
        }
        for (int l = 0; l < 8; l++) {
            note(x.owner(l, OilTown.NONE));
        }
    }

    private void askLines(OilTown x) {
        note(x.fault());
        for (int k = 0; k < 12; k++) {
            for (int what = 0; what <= 3; what++) {
                note(x.line(k, what));
            }
        }
    }

    private void askTape(OilTown x) {
        note(x.orders());
        askLines(x);
    }

    private void askSpots(OilTown x) {
        for (int p = 0; p < 6; p++) {
            note(x.spot(p, 0));
        }
    }

    private void askSheets(OilTown x, int from) {
        x.field(1, 1);
        for (int k = from; k < from + 2; k++) {
            for (int lane = 0; lane <= 2; lane++) {
                int first = x.scan(k, lane, 0);
                note(first);
                for (int i = 1; i <= 72 && first != -11 && first != -13; i++) {
                    note(x.scan(k, lane, i));
                }
            }
        }
    }

    private void askField(OilTown x, int k) {
        note(x.stand(k));
        askCells(x);
    }

    private void askWells(OilTown x, int from) {
        for (int k = from; k < from + 3; k++) {
            for (int what : OF_PERSON) {
                note(x.wellOf(k, what));
            }
            for (int shift = 0; shift < 50; shift++) {
                note(x.drew(k, shift, 0));
            }
        }
    }
}
